/** Promises 11 to 17 with the terms: each sentence that names a boundary case of what can be asked. */
public final class EdgesOfAnswersTest {
    private static final int MIN = Integer.MIN_VALUE;
    private static final int MAX = Integer.MAX_VALUE;

    public static void main(String[] args) {
        Due due = new Due();
        placeOutside(due);
        traitsOutside(due);
        playersRoom(due);
        counterOutside(due);
        visibleOutside(due);
        nearInRooms(due);
        nearInBoxes(due);
        nearInChains(due);
        visibleInTheDark(due);
        lampsNearAndFar(due);
        said(due);
        sayingNone(due);
        sayingAbove39(due);
        call512(due);
        due.end();
    }

    private static void placeOutside(Due due) {
        due.sentence("place: BAD for t outside 0..7");
        StoryWorld world = new StoryWorld();
        int[] outside = {-1, 8, 9, MIN, MAX};
        for (int t : outside) {
            due.is("place(" + t + ")", StoryWorld.BAD, world.place(t));
        }
        world.thing(0, 0, 15);
        world.thing(7, 0, 0);
        due.is("place(0)", 15, world.place(0));
        due.is("place(7)", 0, world.place(7));
    }

    private static void traitsOutside(Due due) {
        due.sentence("traits: BAD for t outside 0..7");
        StoryWorld world = new StoryWorld();
        int[] outside = {-1, 8, 9, MIN, MAX};
        for (int t : outside) {
            due.is("traits(" + t + ")", StoryWorld.BAD, world.traits(t));
        }
        world.thing(0, 15, 0);
        world.thing(7, 1, 0);
        due.is("traits(0)", 15, world.traits(0));
        due.is("traits(7)", 1, world.traits(7));
    }

    private static void playersRoom(Due due) {
        due.sentence("player: The player's room");
        StoryWorld world = new StoryWorld();
        due.is("player() at first", 0, world.player());
        world.link(0, 0, 5);
        world.command(Story.GO, 1, 0);
        due.is("player() after NO_WAY", 0, world.player());
        world.command(Story.GO, 0, 0);
        due.is("player() after GO", 5, world.player());
        Story.bring(world, 0);
        due.is("player() after a rule", 0, world.player());
    }

    private static void counterOutside(Due due) {
        due.sentence("counter: 0 for k outside 0..3");
        StoryWorld world = new StoryWorld();
        for (int k = 0; k <= 3; k++) {
            Story.apply(world, Story.grow(k, k + 1));
        }
        int[] outside = {-1, 4, 5, MIN, MAX};
        for (int k : outside) {
            due.is("counter(" + k + ")", 0, world.counter(k));
        }
        due.is("counter(0)", 1, world.counter(0));
        due.is("counter(3)", 4, world.counter(3));
    }

    private static void visibleOutside(Due due) {
        due.sentence("visible: false for t outside 0..7");
        StoryWorld world = new StoryWorld();
        for (int t = 0; t <= 7; t++) {
            world.thing(t, Story.LAMP, 0);
        }
        int[] outside = {-1, 8, 9, MIN, MAX};
        for (int t : outside) {
            due.no("visible(" + t + ")", world.visible(t));
        }
        due.yes("visible(0)", world.visible(0));
        due.yes("visible(7)", world.visible(7));
    }

    private static void nearInRooms(Due due) {
        due.sentence("A thing is NEAR iff it is in the player's room, or held");
        int[] rooms = {0, 5};
        for (int room : rooms) {
            StoryWorld world = new StoryWorld();
            Story.bring(world, room);
            for (int place = 0; place <= 7; place++) {
                world.thing(7, 0, place);
                due.is("thing 7 of place " + place + " from room " + room,
                        place == room || place == Story.HELD ? 1 : 0, world.visible(7) ? 1 : 0);
            }
        }
    }

    private static void nearInBoxes(Due due) {
        due.sentence("NEAR iff in a near thing that is a box and open");
        int[] places = {0, Story.HELD, 1, Story.NOWHERE};
        for (int place : places) {
            for (int traits = 0; traits <= 15; traits++) {
                StoryWorld world = new StoryWorld();
                world.thing(7, traits, place);
                world.thing(0, 0, Story.in(7));
                boolean box = traits / 2 % 2 == 1;
                boolean open = traits / 4 % 2 == 1;
                boolean near = place == 0 || place == Story.HELD;
                due.is("thing 0 in a thing of traits " + traits + " and place " + place,
                        near && box && open ? 1 : 0, world.visible(0) ? 1 : 0);
            }
        }
    }

    private static void nearInChains(Due due) {
        due.sentence("NEAR iff in a near thing (that is near by being in a near thing, as far as there are things)");
        StoryWorld world = new StoryWorld();
        int[] chain = {3, 6, 0, 7, 1, 5, 2, 4};
        world.thing(chain[0], Story.OPEN_BOX, 0);
        for (int i = 1; i <= 7; i++) {
            world.thing(chain[i], Story.OPEN_BOX, Story.in(chain[i - 1]));
        }
        due.yes("the innermost of eight", world.visible(chain[7]));
        for (int i = 0; i <= 6; i++) {
            world.command(Story.CLOSE, chain[i], 0);
            due.yes("the closed one, number " + i, world.visible(chain[i]));
            due.no("the next one", world.visible(chain[i + 1]));
            due.no("the innermost", world.visible(chain[7]));
            world.command(Story.OPEN, chain[i], 0);
            due.yes("the innermost, opened again", world.visible(chain[7]));
        }
        world.thing(chain[0], Story.OPEN_BOX, Story.HELD);
        due.yes("the innermost, the outermost held", world.visible(chain[7]));
        world.thing(chain[0], Story.OPEN_BOX, Story.NOWHERE);
        due.no("the innermost, the outermost nowhere", world.visible(chain[7]));
        world.thing(chain[0], Story.OPEN_BOX, 5);
        due.no("the innermost, the outermost in another room", world.visible(chain[7]));
    }

    private static void visibleInTheDark(Due due) {
        due.sentence("VISIBLE iff it is near, and the player's room is not dark or some near thing is a lamp");
        StoryWorld world = new StoryWorld();
        world.thing(0, 0, 0);
        world.thing(1, 0, Story.HELD);
        world.dark(5, true);
        due.yes("in the room, another one is dark", world.visible(0));
        world.dark(0, true);
        due.no("in the room, dark", world.visible(0));
        due.no("held, dark", world.visible(1));
        world.thing(1, Story.LAMP, Story.HELD);
        due.yes("in the room, dark, a lamp held", world.visible(0));
        due.yes("the lamp itself", world.visible(1));
        world.thing(2, Story.LAMP, 3);
        due.no("a lamp that is not near", world.visible(2));
        world.thing(1, 7, Story.HELD);
        due.no("all traits but a lamp's", world.visible(0));
    }

    private static void lampsNearAndFar(Due due) {
        due.sentence("some near thing is a lamp (one that is not near gives no light)");
        for (int lamp = 0; lamp <= 7; lamp++) {
            int other = (lamp + 1) % 8;
            int box = (lamp + 2) % 8;
            StoryWorld world = new StoryWorld();
            world.dark(0, true);
            world.thing(other, 0, 0);
            world.thing(box, Story.OPEN_BOX, 0);
            int[] near = {0, Story.HELD, Story.in(box)};
            for (int place : near) {
                world.thing(lamp, Story.LAMP, place);
                due.yes("lamp " + lamp + " in place " + place, world.visible(other));
            }
            int[] far = {1, 5, Story.NOWHERE, Story.in(other)};
            for (int place : far) {
                world.thing(lamp, Story.LAMP, place);
                due.no("lamp " + lamp + " in place " + place, world.visible(other));
            }
            world.thing(lamp, Story.LAMP, Story.in(box));
            due.is("CLOSE the box over the lamp", StoryWorld.DONE, world.command(Story.CLOSE, box, 0));
            due.no("lamp " + lamp + " in a closed box", world.visible(other));
            due.no("the box", world.visible(box));
        }
    }

    private static void said(Due due) {
        due.sentence("said: How many numbers have been said");
        StoryWorld world = new StoryWorld();
        world.rule(Story.TAKE, -1, Story.ALWAYS, Story.say(0));
        due.is("said() at first", 0, world.said());
        for (int i = 1; i <= 60; i++) {
            world.command(Story.TAKE, 0, 0);
            due.is("said()", i, world.said());
        }
        Story.apply(world, Story.grow(0, 1));
        Story.apply(world, Story.move(0, 1));
        Story.apply(world, Story.carry(1));
        due.is("said() after other effects", 60, world.said());
    }

    private static void sayingNone(Due due) {
        due.sentence("saying: Number k of them, from 0; BAD if there is none");
        StoryWorld world = new StoryWorld();
        int[] outside = {-1, -2, MIN, MAX};
        for (int count = 0; count <= 3; count++) {
            for (int k = 0; k < count; k++) {
                due.is("saying(" + k + ") of " + count, 255 - k, world.saying(k));
            }
            for (int k = count; k <= 41; k++) {
                due.is("saying(" + k + ") of " + count, StoryWorld.BAD, world.saying(k));
            }
            for (int k : outside) {
                due.is("saying(" + k + ")", StoryWorld.BAD, world.saying(k));
            }
            Story.apply(world, Story.say(255 - count));
        }
    }

    private static void sayingAbove39(Due due) {
        due.sentence("saying: BAD if k is above 39");
        StoryWorld world = new StoryWorld();
        for (int i = 0; i < 39; i++) {
            Story.apply(world, Story.say(100 + i));
        }
        due.is("saying(38) of 39", 138, world.saying(38));
        due.is("saying(39) of 39", StoryWorld.BAD, world.saying(39));
        for (int i = 39; i < 43; i++) {
            Story.apply(world, Story.say(100 + i));
            due.is("said()", i + 1, world.said());
            due.is("saying(39)", 139, world.saying(39));
            due.is("saying(40)", StoryWorld.BAD, world.saying(40));
            due.is("saying(41)", StoryWorld.BAD, world.saying(41));
            due.is("saying(0)", 100, world.saying(0));
        }
    }

    private static void call512(Due due) {
        due.sentence("An object is used for at most 512 calls");
        StoryWorld world = new StoryWorld();
        for (int i = 0; i < 16; i++) {
            world.rule(Story.TAKE, -1, Story.ALWAYS, Story.say(16 * i + 15));
        }
        for (int i = 0; i < 493; i++) {
            world.command(Story.TAKE, 0, 0);
        }
        due.is("saying(0), call 510", 15, world.saying(0));
        due.is("saying(39), call 511", 16 * 7 + 15, world.saying(39));
        due.is("said(), call 512", 493 * 16, world.said());
    }
}
