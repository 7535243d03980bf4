/** Objects in states that several tests want. */
final class Made {
    private Made() {
    }

    /** Cats of three habits, fish, somebody on the bridge, both images, a trace, and a text that is typed as yet. */
    static NineCats busy(String text) {
        NineCats cats = Due.told("bridge 6 2;fisher 2;sunny 9;follower 0 0;sun 3 2;nose 9;");
        cats.drop(5);
        cats.keep(0);
        cats.enter(1);
        cats.mark(5, 1);
        cats.keep(1);
        cats.drop(11);
        Due.type(cats, text);
        return cats;
    }

    static NineCats inMinute(NineCats cats, int minute) {
        for (int i = 0; i < 5 && cats.now(3) < minute; i++) {
            cats.minutes(Math.min(40, minute - cats.now(3)));
        }
        Due.is("now(3) by minutes() alone", cats.now(3), minute);
        return cats;
    }
}
