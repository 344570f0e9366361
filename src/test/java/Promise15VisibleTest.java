/** Promise 15: visible, with what the terms say of near things and of lamps. */
public final class Promise15VisibleTest {
    public static void main(String[] args) {
        Due due = new Due();
        everyPlace(due);
        inThings(due);
        longChain(due);
        lamps(due);
        everyLamp(due);
        outside(due);
        due.end();
    }

    private static void everyPlace(Due due) {
        for (int room = 0; room < 6; room++) {
            for (int place = 0; place < 8; place++) {
                StoryWorld world = new StoryWorld();
                world.link(0, 0, room);
                world.command(Story.GO, 0, 0);
                world.thing(6, 0, place);
                boolean near = place == room || place == Story.HELD;
                due.is("place " + place + " from room " + room, near ? 1 : 0, world.visible(6) ? 1 : 0);
                world.dark(room, true);
                due.no("in the dark", world.visible(6));
                world.thing(6, Story.LAMP, place);
                due.is("a lamp in the dark", near ? 1 : 0, world.visible(6) ? 1 : 0);
            }
        }
    }

    private static void inThings(Due due) {
        for (int traits = 0; traits < 16; traits++) {
            boolean open = (traits & Story.OPEN_BOX) == Story.OPEN_BOX;
            for (int place = 0; place < 8; place++) {
                StoryWorld world = new StoryWorld();
                world.thing(0, traits, place);
                world.thing(1, 0, Story.in(0));
                boolean near = place == 0 || place == Story.HELD;
                due.is("what it is in", near ? 1 : 0, world.visible(0) ? 1 : 0);
                due.is("in a thing with traits " + traits + " in place " + place, near && open ? 1 : 0,
                        world.visible(1) ? 1 : 0);
            }
        }
    }

    /** Eight things in one another; the one numbered `shut` is a closed box. */
    private static void longChain(Due due) {
        for (int shut = 0; shut <= 8; shut++) {
            StoryWorld world = new StoryWorld();
            for (int t = 0; t < 8; t++) {
                int traits = t == shut ? Story.BOX : Story.OPEN_BOX;
                world.thing(t, traits, t == 0 ? Story.HELD : Story.in(t - 1));
            }
            for (int t = 0; t < 8; t++) {
                due.is("thing " + t + " where " + shut + " is shut", t <= shut ? 1 : 0,
                        world.visible(t) ? 1 : 0);
            }
            world.thing(0, Story.OPEN_BOX, 3);
            due.no("the innermost in another room", world.visible(7));
            due.no("the outermost in another room", world.visible(0));
        }
    }

    private static void lamps(Due due) {
        StoryWorld world = new StoryWorld();
        world.dark(0, true);
        world.thing(0, 0, 0);
        world.thing(1, Story.OPEN_BOX, 0);
        due.no("no lamp", world.visible(0));
        world.thing(7, Story.LAMP, 1);
        due.no("a lamp in another room", world.visible(0));
        world.thing(7, Story.LAMP, Story.NOWHERE);
        due.no("a lamp nowhere", world.visible(0));
        world.thing(7, Story.LAMP, 0);
        due.yes("a lamp in the room", world.visible(0));
        world.thing(7, 7, 0);
        due.no("no lamp but all else", world.visible(0));
        world.thing(7, Story.LAMP, Story.HELD);
        due.yes("a lamp held", world.visible(0));
        world.thing(7, Story.LAMP, Story.in(1));
        due.yes("a lamp in an open box", world.visible(0));
        due.is("CLOSE the box", StoryWorld.DONE, world.command(Story.CLOSE, 1, 0));
        due.no("a lamp in a closed box", world.visible(0));
        due.no("the box", world.visible(1));
        due.no("the lamp", world.visible(7));
        due.is("OPEN it in the dark", StoryWorld.UNSEEN, world.command(Story.OPEN, 1, 0));
        world.thing(7, Story.LAMP, Story.in(0));
        due.no("a lamp in what is no box", world.visible(0));
        world.thing(1, Story.BOX + Story.LAMP, 0);
        due.yes("a closed box that is a lamp", world.visible(0));
        world.thing(2, 0, 1);
        due.no("a lamp shows nothing in another room", world.visible(2));
        world.dark(0, false);
        world.thing(1, 0, 0);
        world.dark(1, true);
        due.yes("another room is dark", world.visible(0));
    }

    private static void everyLamp(Due due) {
        for (int lamp = 0; lamp < 8; lamp++) {
            StoryWorld world = new StoryWorld();
            world.dark(0, true);
            int other = (lamp + 3) % 8;
            world.thing(other, 0, 0);
            due.no("visible(" + other + ")", world.visible(other));
            world.thing(lamp, Story.LAMP, Story.HELD);
            due.yes("visible(" + other + ") with lamp " + lamp, world.visible(other));
        }
    }

    private static void outside(Due due) {
        StoryWorld world = new StoryWorld();
        for (int t = 0; t < 8; t++) {
            world.thing(t, 15, Story.HELD);
            due.yes("visible(" + t + ")", world.visible(t));
        }
        int[] outside = {-1, 8, 9, 16, 100, Integer.MIN_VALUE, Integer.MAX_VALUE};
        for (int t : outside) {
            due.no("visible(" + t + ")", world.visible(t));
        }
    }
}
