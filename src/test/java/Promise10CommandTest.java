/** Promise 10: command; the result of each verb without rules, the first that fits. */
public final class Promise10CommandTest {
    public static void main(String[] args) {
        Due due = new Due();
        wrongOnes(due);
        go(due);
        take(due);
        takeFull(due);
        drop(due);
        put(due);
        putNoBox(due);
        putFull(due);
        openAndClose(due);
        due.end();
    }

    private static void wrongOnes(Due due) {
        for (int verb = -2; verb <= 8; verb++) {
            for (int x = -2; x <= 10; x++) {
                for (int y = -2; y <= 10; y++) {
                    boolean thing = x >= 0 && x <= 7;
                    boolean good = verb == Story.GO ? x >= 0 && x <= 3
                            : verb == Story.PUT ? thing && y >= 0 && y <= 7
                            : verb >= 1 && verb <= 5 && thing;
                    int answer = new StoryWorld().command(verb, x, y);
                    due.is("command(" + verb + ", " + x + ", " + y + ") is BAD", good ? 0 : 1,
                            answer == StoryWorld.BAD ? 1 : 0);
                }
            }
        }
        int[] far = {Integer.MIN_VALUE, Integer.MAX_VALUE};
        for (int n : far) {
            StoryWorld world = new StoryWorld();
            due.is("far verb", StoryWorld.BAD, world.command(n, 0, 0));
            due.is("far x in GO", StoryWorld.BAD, world.command(Story.GO, n, 0));
            due.is("far x", StoryWorld.BAD, world.command(Story.TAKE, n, 0));
            due.is("far y in PUT", StoryWorld.BAD, world.command(Story.PUT, 0, n));
            due.is("far y in GO", StoryWorld.NO_WAY, world.command(Story.GO, 0, n));
            due.is("far y in TAKE", StoryWorld.UNSEEN, world.command(Story.TAKE, 0, n));
        }
    }

    private static void go(Due due) {
        StoryWorld world = new StoryWorld();
        world.link(0, 2, 5);
        world.link(5, 3, 1);
        due.is("GO 3", StoryWorld.NO_WAY, world.command(Story.GO, 3, 0));
        due.is("player()", 0, world.player());
        due.is("GO 2", StoryWorld.DONE, world.command(Story.GO, 2, 0));
        due.is("player()", 5, world.player());
        due.is("GO 2", StoryWorld.NO_WAY, world.command(Story.GO, 2, 0));
        world.dark(5, true);
        due.is("GO 3 in the dark", StoryWorld.DONE, world.command(Story.GO, 3, 0));
        due.is("player()", 1, world.player());
    }

    private static void take(Due due) {
        StoryWorld world = new StoryWorld();
        world.thing(0, 0, 0);
        world.thing(1, Story.FIXED, 0);
        world.thing(2, Story.FIXED, Story.HELD);
        world.thing(3, 0, 1);
        world.thing(4, Story.BOX, 0);
        world.thing(5, 0, Story.in(4));
        due.is("TAKE from another room", StoryWorld.UNSEEN, world.command(Story.TAKE, 3, 0));
        due.is("TAKE from nowhere", StoryWorld.UNSEEN, world.command(Story.TAKE, 7, 0));
        due.is("TAKE out of a closed box", StoryWorld.UNSEEN, world.command(Story.TAKE, 5, 0));
        due.is("TAKE what is held and fixed", StoryWorld.HAVE, world.command(Story.TAKE, 2, 0));
        due.is("TAKE what is fixed", StoryWorld.HEAVY, world.command(Story.TAKE, 1, 0));
        due.is("place(1)", 0, world.place(1));
        due.is("TAKE", StoryWorld.DONE, world.command(Story.TAKE, 0, 0));
        due.is("place(0)", Story.HELD, world.place(0));
        due.is("TAKE again", StoryWorld.HAVE, world.command(Story.TAKE, 0, 0));
        world.dark(0, true);
        due.is("TAKE what is held in the dark", StoryWorld.UNSEEN, world.command(Story.TAKE, 0, 0));
        due.is("TAKE what is fixed in the dark", StoryWorld.UNSEEN, world.command(Story.TAKE, 1, 0));
        world.dark(0, false);
        due.is("TAKE a box", StoryWorld.DONE, world.command(Story.TAKE, 4, 0));
        due.is("what is in it stays in it", Story.in(4), world.place(5));
        due.is("OPEN it", StoryWorld.DONE, world.command(Story.OPEN, 4, 0));
        due.is("TAKE out of what is held", StoryWorld.DONE, world.command(Story.TAKE, 5, 0));
        due.is("place(5)", Story.HELD, world.place(5));
        due.is("traits stay", Story.OPEN_BOX, world.traits(4));
    }

    private static void takeFull(Due due) {
        StoryWorld world = new StoryWorld();
        for (int t = 0; t < 3; t++) {
            world.thing(t, Story.OPEN_BOX, Story.HELD);
        }
        // What is in something held is not held itself.
        world.thing(3, 0, Story.in(0));
        world.thing(4, 0, Story.in(0));
        world.thing(5, 0, 0);
        world.thing(6, Story.FIXED, 0);
        due.is("TAKE the fourth", StoryWorld.DONE, world.command(Story.TAKE, 5, 0));
        due.is("TAKE the fifth", StoryWorld.FULL, world.command(Story.TAKE, 3, 0));
        due.is("place(3)", Story.in(0), world.place(3));
        due.is("HAVE goes before FULL", StoryWorld.HAVE, world.command(Story.TAKE, 0, 0));
        due.is("HEAVY goes before FULL", StoryWorld.HEAVY, world.command(Story.TAKE, 6, 0));
        due.is("UNSEEN goes before FULL", StoryWorld.UNSEEN, world.command(Story.TAKE, 7, 0));
        world.thing(6, 0, Story.HELD);
        due.is("TAKE with five held", StoryWorld.FULL, world.command(Story.TAKE, 4, 0));
    }

    private static void drop(Due due) {
        StoryWorld world = new StoryWorld();
        world.link(0, 0, 3);
        world.command(Story.GO, 0, 0);
        world.thing(0, Story.OPEN_BOX + Story.FIXED, Story.HELD);
        world.thing(1, 0, Story.in(0));
        world.thing(2, 0, 3);
        due.is("DROP what is in the room", StoryWorld.NOT_HELD, world.command(Story.DROP, 2, 0));
        due.is("DROP what is in something held", StoryWorld.NOT_HELD, world.command(Story.DROP, 1, 0));
        due.is("place(1)", Story.in(0), world.place(1));
        due.is("DROP what is nowhere", StoryWorld.NOT_HELD, world.command(Story.DROP, 7, 0));
        world.dark(3, true);
        due.is("DROP unseen and fixed", StoryWorld.DONE, world.command(Story.DROP, 0, 0));
        due.is("place(0)", 3, world.place(0));
        due.is("place(1)", Story.in(0), world.place(1));
        due.is("DROP again", StoryWorld.NOT_HELD, world.command(Story.DROP, 0, 0));
    }

    private static void put(Due due) {
        StoryWorld world = new StoryWorld();
        world.thing(0, 0, Story.HELD);
        world.thing(1, Story.BOX, 0);
        world.thing(2, Story.IS_OPEN, 0);
        world.thing(3, Story.OPEN_BOX, 1);
        world.thing(4, 0, 0);
        world.thing(5, Story.OPEN_BOX + Story.FIXED, Story.HELD);
        due.is("PUT what is not held", StoryWorld.NOT_HELD, world.command(Story.PUT, 4, 5));
        due.is("NOT_HELD goes before UNSEEN", StoryWorld.NOT_HELD, world.command(Story.PUT, 4, 3));
        due.is("PUT into what is far", StoryWorld.UNSEEN, world.command(Story.PUT, 0, 3));
        due.is("PUT into what is nowhere, no box", StoryWorld.UNSEEN, world.command(Story.PUT, 0, 7));
        due.is("PUT into what is open, no box", StoryWorld.NO_BOX, world.command(Story.PUT, 0, 2));
        due.is("PUT into a thing", StoryWorld.NO_BOX, world.command(Story.PUT, 0, 4));
        due.is("PUT into a closed box", StoryWorld.CLOSED, world.command(Story.PUT, 0, 1));
        due.is("place(0)", Story.HELD, world.place(0));
        due.is("PUT a fixed one", StoryWorld.CLOSED, world.command(Story.PUT, 5, 1));
        due.is("PUT", StoryWorld.DONE, world.command(Story.PUT, 0, 5));
        due.is("place(0)", Story.in(5), world.place(0));
        due.is("PUT again", StoryWorld.NOT_HELD, world.command(Story.PUT, 0, 5));
        world.thing(0, 0, Story.HELD);
        world.dark(0, true);
        due.is("PUT in the dark", StoryWorld.UNSEEN, world.command(Story.PUT, 0, 5));
    }

    private static void putNoBox(Due due) {
        StoryWorld world = new StoryWorld();
        world.thing(0, Story.OPEN_BOX, Story.HELD);
        world.thing(1, Story.OPEN_BOX, Story.in(0));
        world.thing(2, Story.OPEN_BOX, Story.in(1));
        world.thing(3, Story.BOX, Story.HELD);
        world.thing(4, Story.BOX, Story.in(0));
        due.is("PUT into itself", StoryWorld.NO_BOX, world.command(Story.PUT, 0, 0));
        due.is("PUT into what is in it", StoryWorld.NO_BOX, world.command(Story.PUT, 0, 1));
        due.is("PUT into what is inside it", StoryWorld.NO_BOX, world.command(Story.PUT, 0, 2));
        due.is("NO_BOX goes before CLOSED", StoryWorld.NO_BOX, world.command(Story.PUT, 0, 4));
        due.is("NO_BOX goes before CLOSED", StoryWorld.NO_BOX, world.command(Story.PUT, 3, 3));
        due.is("place(0)", Story.HELD, world.place(0));
        due.is("PUT another into the innermost", StoryWorld.DONE, world.command(Story.PUT, 3, 2));
        due.is("place(3)", Story.in(2), world.place(3));
    }

    private static void putFull(Due due) {
        StoryWorld world = new StoryWorld();
        world.thing(0, Story.OPEN_BOX, 0);
        world.thing(1, Story.OPEN_BOX, Story.in(0));
        // What is in a thing in the box does not count for the box.
        world.thing(2, 0, Story.in(1));
        world.thing(3, 0, Story.in(1));
        world.thing(4, 0, Story.in(0));
        world.thing(5, 0, Story.HELD);
        world.thing(6, 0, Story.HELD);
        due.is("PUT the third", StoryWorld.DONE, world.command(Story.PUT, 5, 0));
        due.is("PUT the fourth", StoryWorld.FULL, world.command(Story.PUT, 6, 0));
        due.is("place(6)", Story.HELD, world.place(6));
        world.thing(7, 0, Story.in(0));
        due.is("PUT where four are", StoryWorld.FULL, world.command(Story.PUT, 6, 0));
        due.is("CLOSE", StoryWorld.DONE, world.command(Story.CLOSE, 0, 0));
        due.is("CLOSED goes before FULL", StoryWorld.CLOSED, world.command(Story.PUT, 6, 0));
    }

    private static void openAndClose(Due due) {
        for (int traits = 0; traits < 16; traits++) {
            StoryWorld world = new StoryWorld();
            world.thing(0, traits, 0);
            boolean box = (traits & Story.BOX) != 0;
            boolean open = (traits & Story.IS_OPEN) != 0;
            int toOpen = !box ? StoryWorld.NO_BOX : open ? StoryWorld.SAME : StoryWorld.DONE;
            due.is("OPEN with traits " + traits, toOpen, world.command(Story.OPEN, 0, 0));
            due.is("traits", box ? traits | Story.IS_OPEN : traits, world.traits(0));
            world.thing(0, traits, Story.HELD);
            int toClose = !box ? StoryWorld.NO_BOX : open ? StoryWorld.DONE : StoryWorld.SAME;
            due.is("CLOSE with traits " + traits, toClose, world.command(Story.CLOSE, 0, 0));
            due.is("traits", box ? traits & ~Story.IS_OPEN : traits, world.traits(0));
            world.thing(0, traits, 1);
            due.is("OPEN unseen", StoryWorld.UNSEEN, world.command(Story.OPEN, 0, 0));
            due.is("CLOSE unseen", StoryWorld.UNSEEN, world.command(Story.CLOSE, 0, 0));
            due.is("traits", traits, world.traits(0));
            due.is("place", 1, world.place(0));
        }
    }
}
