/** Promise 11: place. */
public final class Promise11PlaceTest {
    public static void main(String[] args) {
        Due due = new Due();
        StoryWorld world = new StoryWorld();
        for (int t = 0; t < 8; t++) {
            world.thing(t, t, (t * 5 + 1) % 8);
        }
        for (int t = 0; t < 8; t++) {
            due.is("place(" + t + ")", (t * 5 + 1) % 8, world.place(t));
        }
        world.thing(0, 0, Story.in(7));
        due.is("place(0)", 15, world.place(0));
        world.thing(7, 0, 3);
        due.is("place(0) when what it is in has moved", 15, world.place(0));
        int[] outside = {-1, 8, 9, 15, 16, 100, Integer.MIN_VALUE, Integer.MAX_VALUE};
        for (int t : outside) {
            due.is("place(" + t + ")", StoryWorld.BAD, world.place(t));
        }
        due.end();
    }
}
