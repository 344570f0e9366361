/** The terms: each sentence that names a boundary case of what conditions ask and of what effects do. */
public final class EdgesOfConditionsAndEffectsTest {
    public static void main(String[] args) {
        Due due = new Due();
        always(due);
        counterAtLeast(due);
        inPlace(due);
        hasTrait(due);
        said(due);
        comesToPlace(due);
        nothingHappens(due);
        movesKnowNoFullPlace(due);
        grows(due);
        growsFarBelowAndAbove(due);
        playerInRoom(due);
        stopsBeside(due);
        due.end();
    }

    private static void always(Due due) {
        due.sentence("CONDITIONS, a and b from 0 to 15: kind 0 it holds");
        StoryWorld world = new StoryWorld();
        int[] edges = {0, 1, 7, 8, 15};
        for (int a : edges) {
            for (int b : edges) {
                due.yes("kind 0, a " + a + ", b " + b, Story.holds(world, Story.code(0, a, b)));
            }
        }
    }

    private static void counterAtLeast(Due due) {
        due.sentence("kind 1 counter a (0 to 3) is at least b");
        for (int k = 0; k <= 3; k++) {
            StoryWorld world = new StoryWorld();
            due.yes("0 is at least 0", Story.holds(world, Story.ifCounter(k, 0)));
            due.no("0 is at least 1", Story.holds(world, Story.ifCounter(k, 1)));
            Story.apply(world, Story.grow(k, -1));
            due.no("-1 is at least 0", Story.holds(world, Story.ifCounter(k, 0)));
            due.no("-1 is at least 15", Story.holds(world, Story.ifCounter(k, 15)));
            Story.apply(world, Story.grow(k, 7));
            due.yes("6 is at least 6", Story.holds(world, Story.ifCounter(k, 6)));
            due.no("6 is at least 7", Story.holds(world, Story.ifCounter(k, 7)));
            due.no("another counter is at least 6", Story.holds(world, Story.ifCounter((k + 1) % 4, 6)));
            Story.apply(world, Story.grow(k, 7));
            Story.apply(world, Story.grow(k, 1));
            due.no("14 is at least 15", Story.holds(world, Story.ifCounter(k, 15)));
            Story.apply(world, Story.grow(k, 1));
            due.yes("15 is at least 15", Story.holds(world, Story.ifCounter(k, 15)));
            Story.apply(world, Story.grow(k, 7));
            due.yes("22 is at least 15", Story.holds(world, Story.ifCounter(k, 15)));
            due.yes("22 is at least 0", Story.holds(world, Story.ifCounter(k, 0)));
        }
    }

    private static void inPlace(Due due) {
        due.sentence("kind 2 thing a (0 to 7) is in place b");
        int[] things = {0, 7};
        int[] places = {0, 5, 6, 7, 9, 14};
        for (int t : things) {
            for (int place : places) {
                StoryWorld world = new StoryWorld();
                world.thing(t, 0, place);
                for (int asked = 0; asked <= 15; asked++) {
                    due.is("thing " + t + " of place " + place + " in " + asked, asked == place ? 1 : 0,
                            Story.holds(world, Story.ifPlace(t, asked)) ? 1 : 0);
                }
                due.yes("another thing is nowhere", Story.holds(world, Story.ifPlace(3, Story.NOWHERE)));
            }
        }
        StoryWorld world = new StoryWorld();
        world.thing(0, Story.OPEN_BOX, Story.HELD);
        world.thing(1, 0, Story.in(0));
        due.no("what is in a thing held is held", Story.holds(world, Story.ifPlace(1, Story.HELD)));
        due.yes("it is in that thing", Story.holds(world, Story.ifPlace(1, Story.in(0))));
    }

    private static void hasTrait(Due due) {
        due.sentence("kind 3 thing a (0 to 7) has trait 2 to the power of b (b from 0 to 3)");
        int[] things = {0, 7};
        for (int t : things) {
            for (int b = 0; b <= 3; b++) {
                StoryWorld world = new StoryWorld();
                due.no("no trait at all", Story.holds(world, Story.ifTrait(t, b)));
                world.thing(t, 1 << b, Story.NOWHERE);
                due.yes("this trait alone", Story.holds(world, Story.ifTrait(t, b)));
                due.no("another thing", Story.holds(world, Story.ifTrait(7 - t, b)));
                world.thing(t, 15 - (1 << b), 0);
                due.no("all other traits", Story.holds(world, Story.ifTrait(t, b)));
                world.thing(t, 15, 0);
                due.yes("all traits", Story.holds(world, Story.ifTrait(t, b)));
            }
        }
    }

    private static void said(Due due) {
        due.sentence("EFFECTS: kind 0 the number a + 16 b is added to what has been SAID");
        int[] codes = {Story.code(0, 0, 0), Story.code(0, 15, 0), Story.code(0, 0, 1), Story.code(0, 0, 15),
            Story.code(0, 15, 15), Story.code(0, 1, 2)};
        int[] numbers = {0, 15, 16, 240, 255, 33};
        StoryWorld world = new StoryWorld();
        for (int i = 0; i < codes.length; i++) {
            Story.apply(world, codes[i]);
            due.is("said()", i + 1, world.said());
            due.is("saying(" + i + ")", numbers[i], world.saying(i));
        }
    }

    private static void comesToPlace(Due due) {
        due.sentence("kind 1 thing a (0 to 7) comes to place b");
        int[] edges = {0, 5, 6, 7, 9, 14};
        StoryWorld world = new StoryWorld();
        for (int place : edges) {
            world.thing(0, 13, 3);
            Story.apply(world, Story.move(0, place));
            due.is("place(0)", place, world.place(0));
            due.is("traits(0)", 13, world.traits(0));
            world.thing(0, 0, Story.NOWHERE);
            Story.apply(world, Story.move(7, place));
            due.is("place(7)", place, world.place(7));
        }
        world.thing(0, 0, 1);
        Story.apply(world, Story.move(7, Story.in(0)));
        due.is("place(7)", Story.in(0), world.place(7));
        Story.apply(world, Story.move(7, 0));
        Story.apply(world, Story.move(0, Story.in(7)));
        due.is("place(0)", Story.in(7), world.place(0));
    }

    private static void nothingHappens(Due due) {
        due.sentence("kind 1: nothing happens if it would get inside itself");
        for (int t = 0; t <= 7; t++) {
            StoryWorld world = new StoryWorld();
            world.thing(t, 6, 4);
            Story.apply(world, Story.move(t, Story.in(t)));
            due.is("thing " + t + " into itself", 4, world.place(t));
            int inner = (t + 3) % 8;
            int innermost = (t + 5) % 8;
            world.thing(inner, 0, Story.in(t));
            Story.apply(world, Story.move(t, Story.in(inner)));
            due.is("into what is in it", 4, world.place(t));
            world.thing(innermost, 0, Story.in(inner));
            Story.apply(world, Story.move(t, Story.in(innermost)));
            due.is("into what is inside it", 4, world.place(t));
            due.is("place of the inner one", Story.in(t), world.place(inner));
            due.is("place of the innermost", Story.in(inner), world.place(innermost));
            Story.apply(world, Story.move(innermost, Story.in(t)));
            due.is("the innermost goes one out", Story.in(t), world.place(innermost));
        }
        StoryWorld world = new StoryWorld();
        for (int t = 1; t <= 7; t++) {
            world.thing(t, 0, Story.in(t - 1));
        }
        Story.apply(world, Story.move(0, Story.in(7)));
        due.is("the outermost of eight into the innermost", Story.NOWHERE, world.place(0));
        due.is("a rule that stops", 1, world.rule(Story.TAKE, 0, Story.ALWAYS, Story.STOPS + Story.move(0, 8)));
        due.is("it stops also where nothing happens", StoryWorld.STOPPED, world.command(Story.TAKE, 0, 0));
    }

    private static void movesKnowNoFullPlace(Due due) {
        due.sentence("kind 1 thing a comes to place b (fixed, full and closed are of commands alone)");
        StoryWorld world = new StoryWorld();
        for (int t = 0; t <= 7; t++) {
            world.thing(t, Story.FIXED, 0);
            Story.apply(world, Story.move(t, Story.HELD));
            due.is("held, thing " + t, Story.HELD, world.place(t));
        }
        for (int t = 1; t <= 7; t++) {
            Story.apply(world, Story.move(t, Story.in(0)));
            due.is("in what is no box, thing " + t, Story.in(0), world.place(t));
        }
    }

    private static void grows(Due due) {
        due.sentence("kind 2 counter a (0 to 3) grows by b - 8");
        int[] bs = {0, 7, 8, 9, 15};
        int[] by = {-8, -1, 0, 1, 7};
        for (int k = 0; k <= 3; k++) {
            for (int i = 0; i < bs.length; i++) {
                StoryWorld world = new StoryWorld();
                Story.apply(world, Story.code(2, k, bs[i]));
                for (int other = 0; other <= 3; other++) {
                    due.is("counter(" + other + ") where " + k + " grew", other == k ? by[i] : 0,
                            world.counter(other));
                }
                Story.apply(world, Story.code(2, k, bs[i]));
                due.is("counter(" + k + ") grown twice", 2 * by[i], world.counter(k));
            }
        }
    }

    private static void growsFarBelowAndAbove(Due due) {
        due.sentence("4 COUNTERS, ints (as far as 512 calls bring them)");
        StoryWorld down = new StoryWorld();
        StoryWorld up = new StoryWorld();
        for (int i = 0; i < 16; i++) {
            down.rule(Story.GO, -1, Story.ALWAYS, Story.grow(0, -8));
            up.rule(Story.GO, -1, Story.ALWAYS, Story.grow(3, 7));
        }
        for (int i = 0; i < 495; i++) {
            down.command(Story.GO, 0, 0);
            up.command(Story.GO, 3, 0);
        }
        due.is("counter(0), call 512", -495 * 16 * 8, down.counter(0));
        due.is("counter(3), call 512", 495 * 16 * 7, up.counter(3));
    }

    private static void playerInRoom(Due due) {
        due.sentence("kind 3 the player is in room a (0 to 5) then");
        StoryWorld world = new StoryWorld();
        int[] rooms = {5, 5, 0, 4, 1};
        for (int room : rooms) {
            Story.apply(world, Story.carry(room));
            due.is("player()", room, world.player());
        }
        Story.apply(world, Story.code(3, 2, 15));
        due.is("player(), whatever b is", 2, world.player());
        world.thing(0, 0, 3);
        world.thing(1, 0, Story.HELD);
        Story.apply(world, Story.carry(3));
        due.yes("what is there is visible", world.visible(0));
        due.is("what is held is held", Story.HELD, world.place(1));
    }

    private static void stopsBeside(Due due) {
        due.sentence("EFFECTS are numbers kind + 4 a + 64 b, plus 1024 if it stops the command");
        int[] effects = {0, 1020, Story.move(7, 14), Story.grow(3, 7), Story.carry(5)};
        for (int effect : effects) {
            StoryWorld world = new StoryWorld();
            world.rule(Story.CLOSE, -1, Story.ALWAYS, effect);
            due.is("effect " + effect, StoryWorld.UNSEEN, world.command(Story.CLOSE, 0, 0));
            world.rule(Story.CLOSE, -1, Story.ALWAYS, effect + 1024);
            due.is("effect " + (effect + 1024), StoryWorld.STOPPED, world.command(Story.CLOSE, 0, 0));
        }
    }
}
