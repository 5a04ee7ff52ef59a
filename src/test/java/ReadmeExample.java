public final class ReadmeExample {
    public static void main(String[] args) {
        Twinchat chat = new Twinchat();
        int ann = 0;                        // RESOURCE 0.0, of USER 0 at SERVER 0
        int bob = 6;                        // RESOURCE 3.0, of USER 3 at SERVER 1
        chat.login(ann);
        chat.login(bob);
        chat.available(ann, 1);
        chat.available(bob, 5);

        chat.subscribe(ann, 3);             // "ask 1 0" waits on the LINK
        print(chat.onLink(0, 0));
        chat.carryAll();
        chat.approve(bob, 0);               // "yes 1 3", then "p 3.0 5"
        chat.carryAll();
        chat.pull(ann, 99);
        print("0.0 sees 3.0 with " + chat.sees(ann, bob));

        int number = chat.send(ann, 3, 0);  // to the RESOURCE 3.0
        chat.fail();
        print("carryAll while it is down: " + chat.carryAll());
        print("link number " + chat.raise());
        for (int server = 0; server < 2; server++) {
            chat.prove(server, chat.key(server));
        }
        print("carried " + chat.carryAll());
        print("due to 3.0: " + chat.due(bob, 2));

        chat.breaks(bob);
        chat.letGo(bob);                    // it never came: the MESSAGE is BOUNCED
        chat.carryAll();
        chat.pull(ann, 99);
        for (int k = chat.ofStream(ann, 4) - 1; k >= 0; k--) {
            print("inbox of 0.0: " + chat.inbox(ann, k));
        }
        print("bounced " + chat.fate(number, 2));

        chat.join(ann, 0);                  // ROOM 0 is at SERVER 0, and USER 0 owns it
        chat.say(ann, 0);
        chat.pull(ann, 1);
        print(chat.inbox(ann, 0) + ", then " + chat.due(ann, 0));
        try {
            chat.say(bob, 0);
        } catch (IllegalStateException e) {
            print("3.0 is not on");
        }
        print("sound " + chat.isSound());
    }

    private static void print(String line) {
        System.out.println(line);
    }
}
