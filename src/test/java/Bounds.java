/** What the tests of boundary cases share: the exceptions, and nets at the edges. */
abstract class Bounds {
    static final Class<? extends RuntimeException> INDEX = Expect.INDEX;
    static final Class<? extends RuntimeException> ARGUMENT = Expect.ARGUMENT;
    static final Class<? extends RuntimeException> STATE = Expect.STATE;
    static final Class<? extends RuntimeException> ELEMENT = Expect.ELEMENT;

    static final Twins NEW = new Twins(PressureNet::new);
    /** 4 nodes, 5 links (none from 0 to 2), 3 flows, 6 changes to undo, a saved copy, 12 bytes in the buffer. */
    static final Twins BUSY = new Twins(Twins::busy);
    /** 10 nodes, 14 links, 6 flows, no packets. */
    static final Twins WIDE = new Twins(Twins::wide);
    /** As WIDE, with 500 packets: 100 from each of the nodes 0 to 4 to the node 9. */
    static final Twins FULL = new Twins(Twins::full);
    /** 2 nodes and nothing else. */
    static final Twins BARE = new Twins(() -> Expect.net("net 2"));
}
