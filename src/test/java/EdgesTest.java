/** Every sentence of the document that names a boundary: too small, too large, empty, full, wrapped around or refused. */
public final class EdgesTest {
    public static void main(String[] args) {
        EdgesBuilding.all();
        EdgesGoing.all();
        EdgesWorks.all();
        EdgesHouse.all();
        Edge.end();
    }
}
