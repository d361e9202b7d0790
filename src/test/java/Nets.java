/** Nets that the tests are about, made by calls alone. */
final class Nets {
    private Nets() {
    }

    /** So many posts, each with a sheet of 11 shorts. */
    static NarrowRows of(int posts) {
        NarrowRows x = new NarrowRows();
        for (int i = 0; i < posts; i++) {
            x.post();
        }
        for (int i = 0; i < posts; i++) {
            x.sheet(i, 1, 11);
        }
        return x;
    }

    /** Roads of weight 1 from each post to the next one. */
    static NarrowRows path(int posts) {
        NarrowRows x = of(posts);
        for (int i = 0; i + 1 < posts; i++) {
            x.weigh(i, i + 1, 1);
        }
        return x;
    }

    /** Roads of weight 1 from post 0 to all others. */
    static NarrowRows star(int posts) {
        NarrowRows x = of(posts);
        for (int i = 1; i < posts; i++) {
            x.weigh(0, i, 1);
        }
        return x;
    }

    /** Roads of weight 1 between all posts. */
    static NarrowRows complete(int posts) {
        NarrowRows x = of(posts);
        for (int i = 0; i < posts; i++) {
            for (int j = i + 1; j < posts; j++) {
                x.weigh(j, i, 1);
            }
        }
        return x;
    }

    static NarrowRows ring(int posts) {
        NarrowRows x = path(posts);
        x.weigh(posts - 1, 0, 1);
        return x;
    }

    /** Brings a row in hand. */
    static void hold(NarrowRows x, int... posts) {
        x.begin();
        for (int post : posts) {
            x.put(post);
        }
    }

    /** Asks place by place whether these posts are in hand, and no more. */
    static void held(Due due, String what, NarrowRows x, int... posts) {
        due.is(what + ": how many are in hand", x.count(4), posts.length);
        for (int place = 0; place < posts.length; place++) {
            due.is(what + ": at(" + place + ")", x.at(place), posts[place]);
        }
    }
}
