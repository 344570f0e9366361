/** Promise 10 with the terms: each sentence that names a boundary case of a command or of its result. */
public final class EdgesOfCommandsTest {
    private static final int MIN = Integer.MIN_VALUE;
    private static final int MAX = Integer.MAX_VALUE;

    public static void main(String[] args) {
        Due due = new Due();
        verbOutside(due);
        xNoDirection(due);
        xNoThing(due);
        yNoThing(due);
        yOfOtherVerbs(due);
        goNoWay(due);
        goDone(due);
        dropNotHeld(due);
        dropDone(due);
        takeUnseen(due);
        takeHave(due);
        takeHeavy(due);
        takeFull(due);
        takeDone(due);
        putNotHeld(due);
        putUnseen(due);
        putNoBox(due);
        putClosed(due);
        putFull(due);
        putDone(due);
        turnUnseen(due);
        turnNoBox(due);
        turnSame(due);
        turnDone(due);
        afterTheRules(due);
        due.end();
    }

    private static void verbOutside(Due due) {
        due.sentence("command: verb outside 0..5: BAD");
        int[] outside = {-1, 6, 7, MIN, MAX};
        for (int verb : outside) {
            due.is("command(" + verb + ", 0, 0)", StoryWorld.BAD, new StoryWorld().command(verb, 0, 0));
        }
        due.is("command(0, 0, 0)", StoryWorld.NO_WAY, new StoryWorld().command(0, 0, 0));
        due.is("command(5, 0, 0)", StoryWorld.UNSEEN, new StoryWorld().command(5, 0, 0));
    }

    private static void xNoDirection(Due due) {
        due.sentence("command: x no direction, in GO: BAD");
        int[] outside = {-1, 4, 5, 7, 8, MIN, MAX};
        for (int x : outside) {
            for (int room = 0; room <= 5; room++) {
                StoryWorld world = new StoryWorld();
                Story.bring(world, room);
                due.is("GO " + x + " in room " + room, StoryWorld.BAD, world.command(Story.GO, x, 0));
            }
        }
        due.is("GO 0", StoryWorld.NO_WAY, new StoryWorld().command(Story.GO, 0, 0));
        due.is("GO 3", StoryWorld.NO_WAY, new StoryWorld().command(Story.GO, 3, 0));
    }

    private static void xNoThing(Due due) {
        due.sentence("command: x no thing, in TAKE, DROP, PUT, OPEN or CLOSE: BAD");
        int[] outside = {-1, 8, 9, MIN, MAX};
        int[] without = {0, StoryWorld.UNSEEN, StoryWorld.NOT_HELD, StoryWorld.NOT_HELD, StoryWorld.UNSEEN,
            StoryWorld.UNSEEN};
        for (int verb = 1; verb <= 5; verb++) {
            for (int x : outside) {
                due.is("command(" + verb + ", " + x + ", 0)", StoryWorld.BAD,
                        new StoryWorld().command(verb, x, 0));
            }
            due.is("command(" + verb + ", 0, 0)", without[verb], new StoryWorld().command(verb, 0, 0));
            due.is("command(" + verb + ", 7, 0)", without[verb], new StoryWorld().command(verb, 7, 0));
        }
    }

    private static void yNoThing(Due due) {
        due.sentence("command: y, in PUT, no thing: BAD");
        int[] outside = {-1, 8, 9, MIN, MAX};
        for (int y : outside) {
            StoryWorld world = new StoryWorld();
            due.is("PUT 0, " + y, StoryWorld.BAD, world.command(Story.PUT, 0, y));
            world.thing(0, 0, Story.HELD);
            due.is("PUT 0, " + y + " where 0 is held", StoryWorld.BAD, world.command(Story.PUT, 0, y));
            due.is("place(0)", Story.HELD, world.place(0));
        }
        due.is("PUT 1, 0", StoryWorld.NOT_HELD, new StoryWorld().command(Story.PUT, 1, 0));
        due.is("PUT 1, 7", StoryWorld.NOT_HELD, new StoryWorld().command(Story.PUT, 1, 7));
    }

    private static void yOfOtherVerbs(Due due) {
        due.sentence("command: y is an operand of PUT alone");
        int[] any = {-1, 8, MIN, MAX};
        for (int y : any) {
            StoryWorld world = new StoryWorld();
            world.link(0, 0, 0);
            world.thing(0, Story.BOX, 0);
            due.is("GO 0", StoryWorld.DONE, world.command(Story.GO, 0, y));
            due.is("OPEN 0", StoryWorld.DONE, world.command(Story.OPEN, 0, y));
            due.is("CLOSE 0", StoryWorld.DONE, world.command(Story.CLOSE, 0, y));
            due.is("TAKE 0", StoryWorld.DONE, world.command(Story.TAKE, 0, y));
            due.is("DROP 0", StoryWorld.DONE, world.command(Story.DROP, 0, y));
        }
    }

    private static void goNoWay(Due due) {
        due.sentence("GO: there is no such exit: NO_WAY");
        StoryWorld world = new StoryWorld();
        world.link(0, 1, 5);
        world.link(5, 0, 0);
        due.is("GO 0, which another room has", StoryWorld.NO_WAY, world.command(Story.GO, 0, 0));
        due.is("GO 2", StoryWorld.NO_WAY, world.command(Story.GO, 2, 0));
        due.is("player()", 0, world.player());
        world.link(0, 1, -1);
        due.is("GO 1, which is gone", StoryWorld.NO_WAY, world.command(Story.GO, 1, 0));
        due.is("player()", 0, world.player());
    }

    private static void goDone(Due due) {
        due.sentence("GO: else the player is in that room then");
        StoryWorld world = new StoryWorld();
        world.link(0, 0, 5);
        world.link(5, 3, 0);
        world.dark(5, true);
        due.is("GO 0 into the dark", StoryWorld.DONE, world.command(Story.GO, 0, 0));
        due.is("player()", 5, world.player());
        due.is("GO 3 in the dark", StoryWorld.DONE, world.command(Story.GO, 3, 0));
        due.is("player()", 0, world.player());
        world.link(0, 2, 0);
        due.is("GO 2 to the same room", StoryWorld.DONE, world.command(Story.GO, 2, 0));
        due.is("player()", 0, world.player());
    }

    private static void dropNotHeld(Due due) {
        due.sentence("DROP: x is not held: NOT_HELD (Held means held itself, not in something held)");
        StoryWorld world = new StoryWorld();
        world.thing(0, Story.OPEN_BOX, Story.HELD);
        int[] places = {0, 5, 7, 8, 15};
        for (int place : places) {
            world.thing(1, 0, place);
            due.is("DROP 1 of place " + place, StoryWorld.NOT_HELD, world.command(Story.DROP, 1, 0));
            due.is("place(1)", place, world.place(1));
        }
    }

    private static void dropDone(Due due) {
        due.sentence("DROP: else x comes into the player's room");
        int[] rooms = {0, 5};
        for (int room : rooms) {
            StoryWorld world = new StoryWorld();
            Story.bring(world, room);
            world.dark(room, true);
            world.thing(7, Story.FIXED, Story.HELD);
            due.is("DROP 7, unseen and fixed", StoryWorld.DONE, world.command(Story.DROP, 7, 0));
            due.is("place(7)", room, world.place(7));
        }
    }

    private static void takeUnseen(Due due) {
        due.sentence("TAKE: x is not visible: UNSEEN (the first that fits)");
        StoryWorld world = new StoryWorld();
        int[] places = {1, 5, 7};
        for (int place : places) {
            world.thing(0, Story.FIXED, place);
            due.is("TAKE 0 of place " + place, StoryWorld.UNSEEN, world.command(Story.TAKE, 0, 0));
            due.is("place(0)", place, world.place(0));
        }
        world.dark(0, true);
        world.thing(0, Story.FIXED, 0);
        due.is("before HEAVY", StoryWorld.UNSEEN, world.command(Story.TAKE, 0, 0));
        world.thing(0, 0, Story.HELD);
        due.is("before HAVE", StoryWorld.UNSEEN, world.command(Story.TAKE, 0, 0));
        for (int t = 1; t <= 3; t++) {
            world.thing(t, 0, Story.HELD);
        }
        world.thing(4, 0, 0);
        due.is("before FULL", StoryWorld.UNSEEN, world.command(Story.TAKE, 4, 0));
    }

    private static void takeHave(Due due) {
        due.sentence("TAKE: x is held: HAVE (before HEAVY and FULL)");
        StoryWorld world = new StoryWorld();
        world.thing(0, 0, Story.HELD);
        due.is("TAKE 0", StoryWorld.HAVE, world.command(Story.TAKE, 0, 0));
        world.thing(0, Story.FIXED, Story.HELD);
        due.is("TAKE 0, fixed", StoryWorld.HAVE, world.command(Story.TAKE, 0, 0));
        for (int t = 1; t <= 3; t++) {
            world.thing(t, 0, Story.HELD);
        }
        due.is("TAKE 3, one of four", StoryWorld.HAVE, world.command(Story.TAKE, 3, 0));
        world.thing(1, Story.OPEN_BOX, Story.HELD);
        world.thing(3, 0, Story.in(1));
        due.is("TAKE 3 in something held", StoryWorld.DONE, world.command(Story.TAKE, 3, 0));
    }

    private static void takeHeavy(Due due) {
        due.sentence("TAKE: x is fixed: HEAVY (before FULL)");
        for (int traits = 0; traits <= 15; traits++) {
            StoryWorld world = new StoryWorld();
            world.thing(0, traits, 0);
            boolean fixed = traits % 2 == 1;
            due.is("TAKE 0 with traits " + traits, fixed ? StoryWorld.HEAVY : StoryWorld.DONE,
                    world.command(Story.TAKE, 0, 0));
            due.is("place(0)", fixed ? 0 : Story.HELD, world.place(0));
        }
        StoryWorld world = new StoryWorld();
        for (int t = 0; t <= 3; t++) {
            world.thing(t, 0, Story.HELD);
        }
        world.thing(4, Story.FIXED, 0);
        due.is("TAKE 4 with four held", StoryWorld.HEAVY, world.command(Story.TAKE, 4, 0));
    }

    private static void takeFull(Due due) {
        due.sentence("TAKE: 4 or more things are held: FULL (Held means held itself)");
        for (int held = 0; held <= 7; held++) {
            StoryWorld world = new StoryWorld();
            for (int t = 0; t < held; t++) {
                world.thing(t, 0, Story.HELD);
            }
            world.thing(7, 0, 0);
            boolean full = held >= 4;
            due.is("TAKE 7 with " + held + " held", full ? StoryWorld.FULL : StoryWorld.DONE,
                    world.command(Story.TAKE, 7, 0));
            due.is("place(7)", full ? 0 : Story.HELD, world.place(7));
        }
        StoryWorld last = new StoryWorld();
        last.thing(0, 0, 0);
        for (int t = 4; t <= 7; t++) {
            last.thing(t, 0, Story.HELD);
        }
        due.is("TAKE 0 with the last four held", StoryWorld.FULL, last.command(Story.TAKE, 0, 0));
        StoryWorld world = new StoryWorld();
        world.thing(0, Story.OPEN_BOX, Story.HELD);
        for (int t = 1; t <= 6; t++) {
            world.thing(t, 0, Story.in(0));
        }
        due.is("TAKE 1, with one held and six in it", StoryWorld.DONE, world.command(Story.TAKE, 1, 0));
        due.is("TAKE 2", StoryWorld.DONE, world.command(Story.TAKE, 2, 0));
        due.is("TAKE 3", StoryWorld.DONE, world.command(Story.TAKE, 3, 0));
        due.is("TAKE 4, with four held", StoryWorld.FULL, world.command(Story.TAKE, 4, 0));
        world.command(Story.DROP, 2, 0);
        due.is("TAKE 4, with one dropped", StoryWorld.DONE, world.command(Story.TAKE, 4, 0));
    }

    private static void takeDone(Due due) {
        due.sentence("TAKE: else x is held then");
        StoryWorld world = new StoryWorld();
        world.thing(0, Story.OPEN_BOX, 0);
        world.thing(7, Story.LAMP, Story.in(0));
        due.is("TAKE 7 out of a box in the room", StoryWorld.DONE, world.command(Story.TAKE, 7, 0));
        due.is("place(7)", Story.HELD, world.place(7));
        due.is("traits(7)", Story.LAMP, world.traits(7));
        world.thing(1, 0, Story.in(0));
        due.is("TAKE 0, the box", StoryWorld.DONE, world.command(Story.TAKE, 0, 0));
        due.is("place(0)", Story.HELD, world.place(0));
        due.is("what is in it stays in it", Story.in(0), world.place(1));
    }

    private static void putNotHeld(Due due) {
        due.sentence("PUT: x is not held: NOT_HELD (the first that fits; held itself, not in something held)");
        StoryWorld world = new StoryWorld();
        world.thing(0, Story.OPEN_BOX, Story.HELD);
        world.thing(2, Story.OPEN_BOX, 0);
        int[] places = {0, 5, 7, 8, 15};
        for (int place : places) {
            world.thing(1, 0, place);
            due.is("PUT 1 of place " + place, StoryWorld.NOT_HELD, world.command(Story.PUT, 1, 2));
            due.is("before UNSEEN", StoryWorld.NOT_HELD, world.command(Story.PUT, 1, 5));
            due.is("before NO_BOX", StoryWorld.NOT_HELD, world.command(Story.PUT, 1, 1));
            due.is("place(1)", place, world.place(1));
        }
    }

    private static void putUnseen(Due due) {
        due.sentence("PUT: y is not visible: UNSEEN (before NO_BOX, CLOSED and FULL)");
        StoryWorld world = new StoryWorld();
        world.thing(0, 0, Story.HELD);
        int[] traits = {0, Story.BOX, Story.IS_OPEN, Story.OPEN_BOX};
        for (int t : traits) {
            world.thing(1, t, 3);
            due.is("PUT 0, 1 of traits " + t, StoryWorld.UNSEEN, world.command(Story.PUT, 0, 1));
        }
        for (int t = 2; t <= 4; t++) {
            world.thing(t, 0, Story.in(1));
        }
        due.is("PUT 0, 1 that is full", StoryWorld.UNSEEN, world.command(Story.PUT, 0, 1));
        world.dark(0, true);
        due.is("PUT 0, 0 in the dark", StoryWorld.UNSEEN, world.command(Story.PUT, 0, 0));
        due.is("place(0)", Story.HELD, world.place(0));
        world.thing(0, Story.LAMP, Story.HELD);
        due.is("PUT 0, 0 in the light of it", StoryWorld.NO_BOX, world.command(Story.PUT, 0, 0));
    }

    private static void putNoBox(Due due) {
        due.sentence("PUT: y is no box, is x, or is inside x: NO_BOX (before CLOSED and FULL)");
        StoryWorld world = new StoryWorld();
        world.thing(0, Story.OPEN_BOX, Story.HELD);
        world.thing(7, 13, 0);
        due.is("y has all traits but a box's", StoryWorld.NO_BOX, world.command(Story.PUT, 0, 7));
        due.is("y is x", StoryWorld.NO_BOX, world.command(Story.PUT, 0, 0));
        world.thing(1, Story.OPEN_BOX, Story.in(0));
        due.is("y is in x", StoryWorld.NO_BOX, world.command(Story.PUT, 0, 1));
        world.thing(2, Story.OPEN_BOX, Story.in(1));
        due.is("y is inside x", StoryWorld.NO_BOX, world.command(Story.PUT, 0, 2));
        world.thing(2, Story.BOX, Story.in(1));
        due.is("y is inside x, and closed", StoryWorld.NO_BOX, world.command(Story.PUT, 0, 2));
        for (int t = 3; t <= 5; t++) {
            world.thing(t, 0, Story.in(1));
        }
        due.is("y is in x, and full", StoryWorld.NO_BOX, world.command(Story.PUT, 0, 1));
        world.thing(6, Story.BOX, Story.HELD);
        due.is("y is x, and closed", StoryWorld.NO_BOX, world.command(Story.PUT, 6, 6));
        for (int t = 3; t <= 5; t++) {
            world.thing(t, 0, Story.in(7));
        }
        due.is("y is no box, and full", StoryWorld.NO_BOX, world.command(Story.PUT, 0, 7));
        due.is("place(0)", Story.HELD, world.place(0));
        due.is("another into what is inside 0", StoryWorld.DONE, world.command(Story.PUT, 6, 1));
    }

    private static void putClosed(Due due) {
        due.sentence("PUT: y is not open: CLOSED (before FULL)");
        StoryWorld world = new StoryWorld();
        world.thing(0, 0, Story.HELD);
        world.thing(7, 15 - Story.IS_OPEN, 0);
        due.is("PUT 0, 7", StoryWorld.CLOSED, world.command(Story.PUT, 0, 7));
        for (int t = 1; t <= 3; t++) {
            world.thing(t, 0, Story.in(7));
        }
        due.is("PUT 0, 7 with three in it", StoryWorld.CLOSED, world.command(Story.PUT, 0, 7));
        due.is("place(0)", Story.HELD, world.place(0));
    }

    private static void putFull(Due due) {
        due.sentence("PUT: 3 or more things are in y: FULL");
        for (int inside = 0; inside <= 6; inside++) {
            StoryWorld world = new StoryWorld();
            world.thing(7, Story.OPEN_BOX, 0);
            for (int t = 1; t <= inside; t++) {
                world.thing(t, 0, Story.in(7));
            }
            world.thing(0, 0, Story.HELD);
            boolean full = inside >= 3;
            due.is("PUT 0, 7 with " + inside + " in it", full ? StoryWorld.FULL : StoryWorld.DONE,
                    world.command(Story.PUT, 0, 7));
            due.is("place(0)", full ? Story.HELD : Story.in(7), world.place(0));
        }
        StoryWorld last = new StoryWorld();
        last.thing(0, Story.OPEN_BOX, Story.HELD);
        last.thing(1, 0, Story.HELD);
        for (int t = 5; t <= 7; t++) {
            last.thing(t, 0, Story.in(0));
        }
        due.is("PUT 1, 0 with the last three in it", StoryWorld.FULL, last.command(Story.PUT, 1, 0));
        StoryWorld world = new StoryWorld();
        world.thing(0, Story.OPEN_BOX, 0);
        world.thing(1, Story.OPEN_BOX, Story.in(0));
        for (int t = 2; t <= 5; t++) {
            world.thing(t, 0, Story.in(1));
        }
        world.thing(6, 0, Story.HELD);
        due.is("with one in it, and four in that one", StoryWorld.DONE, world.command(Story.PUT, 6, 0));
    }

    private static void putDone(Due due) {
        due.sentence("PUT: else x is in y then");
        StoryWorld world = new StoryWorld();
        world.thing(0, Story.OPEN_BOX + Story.FIXED, Story.HELD);
        world.thing(7, Story.OPEN_BOX, 0);
        world.thing(1, 0, Story.in(0));
        due.is("PUT 0, 7, a fixed one", StoryWorld.DONE, world.command(Story.PUT, 0, 7));
        due.is("place(0)", Story.in(7), world.place(0));
        due.is("what is in it stays in it", Story.in(0), world.place(1));
        world.thing(0, Story.OPEN_BOX, Story.HELD);
        world.thing(7, 0, Story.HELD);
        due.is("PUT 7, 0, into one that is held", StoryWorld.DONE, world.command(Story.PUT, 7, 0));
        due.is("place(7)", Story.in(0), world.place(7));
    }

    private static void turnUnseen(Due due) {
        due.sentence("OPEN and CLOSE: x is not visible: UNSEEN (before NO_BOX and SAME)");
        for (int traits = 0; traits <= 7; traits++) {
            StoryWorld world = new StoryWorld();
            world.thing(0, traits, 4);
            due.is("OPEN with traits " + traits, StoryWorld.UNSEEN, world.command(Story.OPEN, 0, 0));
            due.is("CLOSE with traits " + traits, StoryWorld.UNSEEN, world.command(Story.CLOSE, 0, 0));
            world.thing(0, traits, Story.HELD);
            world.dark(0, true);
            due.is("OPEN in the dark", StoryWorld.UNSEEN, world.command(Story.OPEN, 0, 0));
            due.is("CLOSE in the dark", StoryWorld.UNSEEN, world.command(Story.CLOSE, 0, 0));
            due.is("traits(0)", traits, world.traits(0));
        }
    }

    private static void turnNoBox(Due due) {
        due.sentence("OPEN and CLOSE: x is no box: NO_BOX (before SAME)");
        int[] noBox = {0, Story.FIXED, Story.IS_OPEN, Story.LAMP, 13};
        for (int traits : noBox) {
            StoryWorld world = new StoryWorld();
            world.thing(7, traits, 0);
            due.is("OPEN with traits " + traits, StoryWorld.NO_BOX, world.command(Story.OPEN, 7, 0));
            due.is("CLOSE with traits " + traits, StoryWorld.NO_BOX, world.command(Story.CLOSE, 7, 0));
            due.is("traits(7)", traits, world.traits(7));
        }
    }

    private static void turnSame(Due due) {
        due.sentence("OPEN and CLOSE: it is so already: SAME");
        int[] closed = {2, 3, 10, 11};
        for (int traits : closed) {
            StoryWorld world = new StoryWorld();
            world.thing(7, traits, 0);
            due.is("CLOSE with traits " + traits, StoryWorld.SAME, world.command(Story.CLOSE, 7, 0));
            due.is("traits(7)", traits, world.traits(7));
            world.thing(7, traits + 4, 0);
            due.is("OPEN with traits " + (traits + 4), StoryWorld.SAME, world.command(Story.OPEN, 7, 0));
            due.is("traits(7)", traits + 4, world.traits(7));
        }
    }

    private static void turnDone(Due due) {
        due.sentence("OPEN and CLOSE: else it is so then");
        int[] closed = {2, 3, 10, 11};
        for (int traits : closed) {
            StoryWorld world = new StoryWorld();
            world.thing(0, traits, Story.HELD);
            due.is("OPEN with traits " + traits, StoryWorld.DONE, world.command(Story.OPEN, 0, 0));
            due.is("traits(0)", traits + 4, world.traits(0));
            due.is("OPEN again", StoryWorld.SAME, world.command(Story.OPEN, 0, 0));
            due.is("CLOSE", StoryWorld.DONE, world.command(Story.CLOSE, 0, 0));
            due.is("traits(0)", traits, world.traits(0));
            due.is("CLOSE again", StoryWorld.SAME, world.command(Story.CLOSE, 0, 0));
        }
    }

    private static void afterTheRules(Due due) {
        due.sentence("First the RULES; else, the first that fits (in the world as the rules left it)");
        StoryWorld world = new StoryWorld();
        world.rule(Story.TAKE, 0, Story.ALWAYS, Story.move(0, Story.HELD));
        due.is("TAKE 0, held by a rule", StoryWorld.HAVE, world.command(Story.TAKE, 0, 0));
        world.rule(Story.TAKE, 1, Story.ALWAYS, Story.move(1, 0));
        due.is("TAKE 1, brought by a rule", StoryWorld.DONE, world.command(Story.TAKE, 1, 0));
        world.rule(Story.DROP, 1, Story.ALWAYS, Story.carry(5));
        due.is("DROP 1", StoryWorld.DONE, world.command(Story.DROP, 1, 0));
        due.is("place(1), where a rule brought the player", 5, world.place(1));
        world.thing(2, Story.OPEN_BOX, 5);
        world.rule(Story.PUT, 0, Story.ALWAYS, Story.move(2, 1));
        due.is("PUT 0, 2, taken away by a rule", StoryWorld.UNSEEN, world.command(Story.PUT, 0, 2));
        world.rule(Story.CLOSE, 2, Story.ALWAYS, Story.move(2, 5));
        due.is("CLOSE 2, brought by a rule", StoryWorld.DONE, world.command(Story.CLOSE, 2, 0));
    }
}
